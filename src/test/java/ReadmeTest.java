import java.io.IOException;
import java.lang.reflect.InvocationTargetException;
import java.lang.reflect.Method;
import java.lang.reflect.Modifier;
import java.net.URL;
import java.net.URLClassLoader;
import java.nio.file.Files;
import java.nio.file.Path;
import java.util.ArrayList;
import java.util.HashSet;
import java.util.List;
import java.util.Set;
import java.util.regex.Matcher;
import java.util.regex.Pattern;

/**
 * What README.md shows is what the class answers: its Java is compiled as it stands, and run on one object.
 * It runs in the project's own folder.
 */
public final class ReadmeTest {
    /** A call and behind it its answer, or what it throws; words may follow. */
    private static final Pattern SHOWN = Pattern.compile("x\\.((\\w+)\\(.*\\)); +// (?:(-?\\d+)|throws (\\w+))(?:: .*)?");
    private static final Check CHECK = new Check();

    /** The README's Java as a class: its methods, and all else in the order in which it stands. */
    private final List<String> methods = new ArrayList<>();
    private final List<String> steps = new ArrayList<>();
    private final Set<String> callsShown = new HashSet<>();

    /** What the README's run calls with each answer. */
    public static void due(String call, long got, long want) {
        CHECK.due("README: " + call, got, want);
    }

    /** What the README's run calls where an exception is due, with the one that came, if any. */
    public static void dueThrown(String call, RuntimeException got, String want) {
        String name = got == null ? "nothing" : got.getClass().getSimpleName();
        CHECK.due("README: " + call + " throws " + want + ", thrown is " + name, name.equals(want));
    }

    public static void main(String[] args) throws IOException, InterruptedException, ReflectiveOperationException {
        ReadmeTest test = new ReadmeTest();
        test.read(Files.readAllLines(Path.of("README.md")));
        test.run();
        test.everyCallIsShown();
        CHECK.finish("ReadmeTest");
    }

    private void read(List<String> lines) {
        boolean isJava = false;
        boolean isMethod = false;
        for (String line : lines) {
            if (line.startsWith("```")) {
                isJava = line.equals("```java");
            } else if (isJava) {
                isMethod = isMethod || line.startsWith("static ");
                (isMethod ? methods : steps).add(isMethod ? line : step(line));
                isMethod = isMethod && !line.equals("}");
            }
        }
    }

    /** A line that shows an answer asks whether it is so; others stay as they are. */
    private String step(String line) {
        Matcher shown = SHOWN.matcher(line);
        if (!shown.matches()) {
            CHECK.due("README: an answer stands behind " + line, !line.startsWith("x."));
            return line;
        }
        callsShown.add(shown.group(2));
        String call = shown.group(1);
        if (shown.group(3) != null) {
            return "ReadmeTest.due(\"" + call + "\", x." + call + ", " + shown.group(3) + "L);";
        }
        return "{ RuntimeException got = null; try { x." + call + "; } catch (RuntimeException e) { got = e; } "
            + "ReadmeTest.dueThrown(\"" + call + "\", got, \"" + shown.group(4) + "\"); }";
    }

    private void run() throws IOException, InterruptedException, ReflectiveOperationException {
        Path folder = Files.createTempDirectory("readme");
        try {
            Path source = folder.resolve("Readme.java");
            Files.writeString(source, "public final class Readme {\n" + String.join("\n", methods)
                + "\npublic static void run() {\n" + String.join("\n", steps) + "\n}\n}\n");
            String classes = System.getProperty("java.class.path");
            ProcessBuilder javac = new ProcessBuilder("javac", "-cp", classes, "-d", folder.toString(), source.toString());
            boolean isCompiled = javac.inheritIO().start().waitFor() == 0;
            CHECK.due("README: its Java is compiled", isCompiled);
            if (isCompiled) {
                call(folder);
            }
        } finally {
            for (String name : new String[] {"Readme.java", "Readme.class"}) {
                Files.deleteIfExists(folder.resolve(name));
            }
            Files.deleteIfExists(folder);
        }
    }

    private static void call(Path folder) throws IOException, ReflectiveOperationException {
        URL[] place = {folder.toUri().toURL()};
        try (URLClassLoader loader = new URLClassLoader(place, ReadmeTest.class.getClassLoader())) {
            loader.loadClass("Readme").getMethod("run").invoke(null);
        } catch (InvocationTargetException e) {
            CHECK.due("README: its run ends; it throws " + e.getCause(), false);
        }
    }

    private void everyCallIsShown() {
        for (Method m : SlateRows.class.getDeclaredMethods()) {
            if (Modifier.isPublic(m.getModifiers())) {
                CHECK.due("README: " + m.getName() + " is shown with an answer", callsShown.contains(m.getName()));
            }
        }
    }
}
