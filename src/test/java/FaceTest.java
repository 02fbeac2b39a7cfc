import java.io.IOException;
import java.lang.reflect.Constructor;
import java.lang.reflect.Field;
import java.lang.reflect.Method;
import java.lang.reflect.Modifier;
import java.nio.file.Files;
import java.nio.file.Path;
import java.util.Arrays;
import java.util.Set;
import java.util.TreeSet;
import java.util.regex.Matcher;
import java.util.regex.Pattern;
import java.util.stream.Collectors;

/** The public face with what it says ahead of its calls, and rule 1 of LANGUAGE.md. */
public final class FaceTest {
    private static final Path SOURCE = Path.of("src/main/java/CombersSociety.java");
    private static final String[] FACE = {
        "int join(int,int) IllegalArgumentException IllegalStateException",
        "int place(int,int) IndexOutOfBoundsException IllegalStateException",
        "int give(int,int,int) IndexOutOfBoundsException IllegalArgumentException IllegalStateException",
        "int settle(int) IndexOutOfBoundsException IllegalStateException",
        "int told(int,int) IndexOutOfBoundsException",
        "int owes()",
        "int setFever(int,int) IndexOutOfBoundsException IllegalArgumentException",
        "int setDues(int) IllegalArgumentException",
        "int buy(int,int) IndexOutOfBoundsException IllegalArgumentException IllegalStateException",
        "int sell(int) IllegalArgumentException IllegalStateException",
        "int pot(int,int) IndexOutOfBoundsException",
        "int count(int) IndexOutOfBoundsException",
        "int pass(int) IllegalArgumentException",
        "int foresee(int,int) IllegalArgumentException IndexOutOfBoundsException",
        "int earns(int) IndexOutOfBoundsException",
        "int dies(int) IndexOutOfBoundsException",
        "int lasts()",
        "int advise(int) IndexOutOfBoundsException IllegalStateException",
        "double mean()",
        "long digest()"
    };

    private static final String SECTIONS = "---- members: join place give settle told owes"
            + " ---- stores and rules: setFever setDues buy sell pot count"
            + " ---- weeks and what would be: pass foresee earns dies lasts advise mean digest";

    public static void main(String[] args) throws IOException {
        Class<?> face = CombersSociety.class;
        Check.judge(face.getModifiers() == (Modifier.PUBLIC | Modifier.FINAL), "the class", "public final", "not");
        methods(face);
        constructors(face);
        fields(face);
        classesInside(face);
        sections();
        Check.end();
    }

    private static void methods(Class<?> face) {
        Set<String> due = new TreeSet<>(Arrays.asList(FACE));
        Set<String> got = new TreeSet<>();
        Set<String> publicNames = new TreeSet<>();
        Set<String> privateNames = new TreeSet<>();
        for (Method method : face.getDeclaredMethods()) {
            if (Modifier.isPrivate(method.getModifiers())) {
                privateNames.add(method.getName());
            } else {
                got.add(inWords(method));
                publicNames.add(method.getName());
                Check.judge(method.getModifiers() == Modifier.PUBLIC, method.getName(), "public", "not");
            }
        }
        Check.judge(due.equals(got), "the methods", due.toString(), got.toString());
        privateNames.retainAll(publicNames);
        Check.judge(privateNames.isEmpty(), "private methods with names of the face", "none", privateNames.toString());
    }

    private static String inWords(Method method) {
        String arguments = Arrays.stream(method.getParameterTypes())
                .map(Class::getSimpleName).collect(Collectors.joining(","));
        String exceptions = Arrays.stream(method.getExceptionTypes())
                .map(kind -> " " + kind.getSimpleName()).collect(Collectors.joining());
        return method.getReturnType() + " " + method.getName() + "(" + arguments + ")" + exceptions;
    }

    private static void constructors(Class<?> face) {
        Constructor<?>[] all = face.getDeclaredConstructors();
        Check.same("constructors", 1, all.length);
        Check.same("its arguments", 0, all[0].getParameterCount());
        Check.judge(Modifier.isPublic(all[0].getModifiers()), "the constructor", "public", "not");
    }

    private static void fields(Class<?> face) {
        for (Field field : face.getDeclaredFields()) {
            int modifiers = field.getModifiers();
            Check.judge(Modifier.isPrivate(modifiers), field.getName(), "private", "not");
            Check.judge(Modifier.isFinal(modifiers), field.getName(), "final", "not");
        }
    }

    private static void classesInside(Class<?> face) {
        for (Class<?> inside : face.getDeclaredClasses()) {
            int modifiers = inside.getModifiers();
            Check.judge(Modifier.isStatic(modifiers), inside.getName(), "static", "not");
            Check.judge((modifiers & (Modifier.PUBLIC | Modifier.PROTECTED)) == 0, inside.getName(), "hidden", "not");
            for (Method method : inside.getDeclaredMethods()) {
                boolean isOfTheFace = Arrays.stream(FACE).anyMatch(call -> call.contains(" " + method.getName() + "("));
                Check.judge(!isOfTheFace, inside.getName() + "." + method.getName(), "no name of the face", "one");
            }
        }
    }

    private static void sections() throws IOException {
        StringBuilder got = new StringBuilder();
        Pattern headingOrCall = Pattern.compile("(?m)^    (?:// (---- .*)|public \\w+ (\\w+)\\()");
        Matcher lines = headingOrCall.matcher(Files.readString(SOURCE));
        while (lines.find()) {
            got.append(' ').append(lines.group(1) != null ? lines.group(1) + ":" : lines.group(2));
        }
        Check.judge(SECTIONS.equals(got.toString().trim()), "the face in its order", SECTIONS, got.toString());
    }
}
