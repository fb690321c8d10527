import java.io.IOException;
import java.lang.reflect.Constructor;
import java.lang.reflect.Field;
import java.lang.reflect.Method;
import java.lang.reflect.Modifier;
import java.nio.file.Files;
import java.nio.file.Path;
import java.util.ArrayList;
import java.util.Arrays;
import java.util.List;
import java.util.TreeSet;

/** The face is the document's, no more and no less. It runs in the project's own folder. */
public final class FaceTest {
    private static final Check CHECK = new Check();
    /** Name and how many ints each method takes. */
    private static final String[] FACE = {
        "roof 1", "width 2", "heap 2", "lap 1", "rowOf 2", "slate 2", "joint 2", "may 2", "judge 2", "lay 2",
        "takeUp 1", "fills 1", "first 2", "best 2", "cuts 2", "uses 2", "needs 2", "ends 2", "gaps 1", "two 2",
        "all 1", "broken 2", "by 4", "image 0", "restore 0", "count 1", "keep 4", "row 3", "put 3", "element 2",
        "copy 5", "toil 1", "toss 1"};

    public static void main(String[] args) throws IOException {
        sameAsInDocument();
        methods();
        constructors();
        fields();
        classesInside();
        CHECK.finish("FaceTest");
    }

    /** The document's face and the program's have the same lines in the same order. */
    private static void sameAsInDocument() throws IOException {
        String document = Files.readString(Path.of("../shared/DOC.md"));
        String face = document.substring(document.indexOf("## The public face"), document.indexOf("## Terms"));
        List<String> wanted = publicLines(face);
        List<String> got = publicLines(Files.readString(Path.of("src/main/java/SlateRows.java")));
        CHECK.due("lines of the face", got.size(), wanted.size());
        for (int i = 0; i < wanted.size() && i < got.size(); i++) {
            CHECK.due("the face has " + wanted.get(i) + ", the program " + got.get(i), got.get(i).equals(wanted.get(i)));
        }
    }

    private static List<String> publicLines(String text) {
        List<String> found = new ArrayList<>();
        for (String line : text.split("\n")) {
            if (line.trim().startsWith("public ")) {
                found.add(line.replaceAll("( \\{|;)$", "").trim());
            }
        }
        return found;
    }

    private static void methods() {
        TreeSet<String> open = new TreeSet<>();
        TreeSet<String> names = new TreeSet<>();
        for (Method m : SlateRows.class.getDeclaredMethods()) {
            if (Modifier.isPublic(m.getModifiers())) {
                open.add(m.getName() + " " + m.getParameterCount());
                names.add(m.getName());
                for (Class<?> type : m.getParameterTypes()) {
                    CHECK.due(m.getName() + " takes ints", type == int.class);
                }
                CHECK.due(m.getName() + "'s type", m.getReturnType() == (m.getName().equals("element") ? long.class : int.class));
                CHECK.due(m.getName() + " is of an object", !Modifier.isStatic(m.getModifiers()));
                List<Class<?>> thrown = Arrays.asList(m.getExceptionTypes());
                boolean isElement = thrown.equals(List.of(IllegalArgumentException.class, IllegalStateException.class));
                CHECK.due(m.getName() + "'s exceptions", m.getName().equals("element") ? isElement : thrown.isEmpty());
            }
        }
        CHECK.due("the public methods", open.equals(new TreeSet<>(Arrays.asList(FACE))));
        for (Method m : SlateRows.class.getDeclaredMethods()) {
            if (!Modifier.isPublic(m.getModifiers())) {
                CHECK.due(m.getName() + " is private", Modifier.isPrivate(m.getModifiers()));
                CHECK.due(m.getName() + " bears no public name", !names.contains(m.getName()));
            }
        }
    }

    private static void constructors() {
        Constructor<?>[] all = SlateRows.class.getDeclaredConstructors();
        CHECK.due("constructors", all.length, 1);
        CHECK.due("the constructor is public", Modifier.isPublic(all[0].getModifiers()));
        CHECK.due("the constructor takes nothing", all[0].getParameterCount(), 0);
        CHECK.due("the class is public and final",
            Modifier.isPublic(SlateRows.class.getModifiers()) && Modifier.isFinal(SlateRows.class.getModifiers()));
    }

    private static void fields() {
        for (Field f : SlateRows.class.getDeclaredFields()) {
            CHECK.due(f.getName() + " is private", Modifier.isPrivate(f.getModifiers()));
            CHECK.due(f.getName() + " is no static state",
                !Modifier.isStatic(f.getModifiers()) || Modifier.isFinal(f.getModifiers()));
        }
    }

    private static void classesInside() {
        Class<?>[] inside = SlateRows.class.getDeclaredClasses();
        CHECK.due("some twelve classes at most", inside.length <= 11);
        for (Class<?> c : inside) {
            CHECK.due(c.getName() + " is static", Modifier.isStatic(c.getModifiers()));
            CHECK.due(c.getName() + " is not open",
                !Modifier.isPublic(c.getModifiers()) && !Modifier.isProtected(c.getModifiers()));
            int states = 0;
            for (Field f : c.getDeclaredFields()) {
                boolean isStatic = Modifier.isStatic(f.getModifiers());
                CHECK.due(c.getName() + "." + f.getName() + " is no static state", !isStatic || Modifier.isFinal(f.getModifiers()));
                states += isStatic ? 0 : 1;
            }
            CHECK.due(c.getName() + " has some twenty fields at most", states <= 20);
        }
    }
}
