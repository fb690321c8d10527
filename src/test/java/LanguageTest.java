import java.io.IOException;
import java.nio.file.Files;
import java.nio.file.Path;
import java.util.List;
import java.util.regex.Pattern;

/** The rules of LANGUAGE.md that a look at the text can hold. It runs in the project's own folder. */
public final class LanguageTest {
    private static final Check CHECK = new Check();
    private static final int LONGEST_METHOD = 60;
    private static final int MOST_PARAMETERS = 7;
    private static final String[] RULED_OUT = {
        "\\bimport\\b", "\\bpackage\\b", "\\bfinally\\b", "\\bassert\\b", "\\bsynchronized\\b", "->", "::",
        "static \\{", "Exact\\(", "\\bSystem\\.(?!arraycopy)", "\\bRandom\\b", "\\bThread\\b", "getMessage",
        "catch \\((RuntimeException|Exception|Throwable|Error|IndexOutOfBounds|ArrayIndex|NullPointer|Arithmetic"
            + "|ClassCast|NegativeArray|ArrayStore)", "\\bvar\\b", "\\bprotected\\b", "toString|hashCode"};

    public static void main(String[] args) throws IOException {
        List<String> lines = Files.readAllLines(Path.of("src/main/java/SlateRows.java"));
        ruledOut(lines);
        methods(lines);
        CHECK.finish("LanguageTest");
    }

    private static void ruledOut(List<String> lines) {
        for (String rule : RULED_OUT) {
            Pattern pattern = Pattern.compile(rule);
            for (int i = 0; i < lines.size(); i++) {
                String code = lines.get(i).replaceAll("//.*|^ *\\*.*|/\\*\\*.*", "");
                CHECK.due("line " + (i + 1) + " has nothing like " + rule, !pattern.matcher(code).find());
            }
        }
        for (int i = 0; i < lines.size(); i++) {
            CHECK.due("signs of line " + (i + 1), lines.get(i).matches("[\\x20-\\x7e]*"));
        }
    }

    /** A method begins at a line that ends with a parameter list and a brace, and ends at a brace as deep. */
    private static void methods(List<String> lines) {
        Pattern head = Pattern.compile("^( {4}| {8})(?:[a-zA-Z\\[\\]]+ )+[a-zA-Z]+\\(([^)]*)\\)[^;=]*\\{$");
        int methods = 0;
        for (int i = 0; i < lines.size(); i++) {
            var matcher = head.matcher(lines.get(i));
            if (matcher.find()) {
                methods++;
                String end = matcher.group(1) + "}";
                int length = lines.subList(i, lines.size()).indexOf(end) + 1;
                CHECK.due("the method at line " + (i + 1) + " is short", length > 0 && length <= LONGEST_METHOD);
                int parameters = matcher.group(2).isEmpty() ? 0 : matcher.group(2).split(",").length;
                CHECK.due("the method at line " + (i + 1) + " takes few", parameters <= MOST_PARAMETERS);
            }
        }
        CHECK.due("there are methods", methods > 80);
    }
}
