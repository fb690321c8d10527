import java.util.Arrays;
import java.util.List;
import java.util.Set;

/**
 * Sentences of the document, each with runs of calls that go wrong if it is broken.
 *
 * A line of a run is a call and the answer that is due: "fills(0) = 5". An argument may be what a shelf is to
 * hold: a text ("r10;", on shelf 7), numbers ([1 2], [1 2]b, [1 2]s: ints, bytes, shorts, on shelf 6) or a laying
 * (&lt;kind figure&gt;, on shelf 5); 3:[1 2] puts it on shelf 3. "joint(0, 0..) = 5 10 -4" is a call for each answer.
 */
final class Edges {
    private static final Set<String> CHANGING = Set.of(
        "roof", "heap", "lap", "lay", "takeUp", "image", "restore", "keep", "row", "put", "copy");

    private final Check check;
    private final Document document;
    private String sentence = "";

    Edges(Check check, Document document) {
        this.check = check;
        this.document = document;
    }

    /** The runs that come now are for these words of a promise, or of the terms that it uses. */
    void says(int promise, String words) {
        sentence = "promise " + promise + ", \"" + words + "\": ";
        check.due(sentence + "the document says so", document.quote(promise, words));
    }

    /**
     * A new object's run. A second object gets only those of the calls that change something: if both are not alike
     * in the end, a call that was refused, or that only asks, has changed something.
     */
    void run(String... lines) {
        Script whole = new Script();
        Script bare = new Script();
        for (String line : lines) {
            call(whole, bare, line);
        }
        List<String> seen = whole.state();
        List<String> wanted = bare.state();
        for (int i = 0; i < seen.size() && i < wanted.size(); i++) {
            boolean isAlike = seen.get(i).equals(wanted.get(i));
            check.due(sentence + lines[0] + " ..: without refused calls " + wanted.get(i) + ", with them " + seen.get(i), isAlike);
        }
    }

    /** A run that begins with lines that other runs begin with, too. */
    void runBehind(String[] begin, String... lines) {
        String[] whole = Arrays.copyOf(begin, begin.length + lines.length);
        System.arraycopy(lines, 0, whole, begin.length, lines.length);
        run(whole);
    }

    private void call(Script whole, Script bare, String line) {
        String[] sides = line.split("\\) = ");
        int open = sides[0].indexOf('(');
        String name = sides[0].substring(0, open);
        String inside = sides[0].substring(open + 1);
        String[] parts = inside.isEmpty() ? new String[0] : inside.split(", ");
        int[] numbers = new int[parts.length];
        int counted = -1;
        for (int i = 0; i < parts.length; i++) {
            if (parts[i].endsWith("..")) {
                counted = i;
                numbers[i] = Integer.parseInt(parts[i].substring(0, parts[i].length() - 2));
            } else {
                numbers[i] = whole.number(parts[i]);
                bare.number(parts[i]);
            }
        }
        for (String due : sides[1].split(" ")) {
            String got = whole.answer(name, numbers);
            check.due(sentence + line + ": " + Script.told(name, numbers) + " answered " + got, got.equals(due));
            if (CHANGING.contains(name) && !got.startsWith("-")) {
                bare.answer(name, numbers);
            }
            if (counted >= 0) {
                numbers[counted]++;
            }
        }
    }
}
